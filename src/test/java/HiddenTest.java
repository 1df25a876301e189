/** Promises 29 to 32: sights of a hidden list, the lists that fit them. */
public final class HiddenTest {
    private static final int NONE = -9, UNKNOWN = -1, FULL = -4;
    private static final Check check = new Check("HiddenTest");

    private static void due(String call, long got, long want) {
        check.due(call, got, want);
    }

    public static void main(String[] args) {
        sight();
        lists();
        listed();
        listedOfNone();
        check.end();
    }

    private static void sight() {
        NeverHadBefore x = new NeverHadBefore();
        due("sight(6, true)", x.sight(6, true), UNKNOWN);
        due("sight(-1, false)", x.sight(-1, false), UNKNOWN);
        due("about(5)", x.about(5), 0);
        for (int i = 1; i <= 8; i++) {
            due("sight " + i, x.sight(i % 6, false), i);
        }
        due("sight 9", x.sight(0, true), FULL);
        due("sight 9 of no sort", x.sight(6, true), UNKNOWN);
        due("about(5) full", x.about(5), 8);
        due("unsee()", x.unsee(), 8);
        due("unsee() again", x.unsee(), 0);
        due("about(5)", x.about(5), 0);
        due("lists()", x.lists(), 64);
        due("sight behind unsee", x.sight(5, true), 1);
        Check.anew(x, "Pa000000");
        due("about(5): sights stay in a new fair", x.about(5), 1);
    }

    private static void lists() {
        NeverHadBefore x = new NeverHadBefore();
        x.sight(0, true);
        due("lists(): took a", x.lists(), 32);
        x.sight(0, false);
        due("lists(): refused a then", x.lists(), 32);
        x.sight(1, false);
        due("lists(): refused b", x.lists(), 16);
        x.sight(1, false);
        due("lists(): refused b again", x.lists(), 16);
        x.sight(5, true);
        due("lists(): took f", x.lists(), 8);
        x.sight(5, true);
        due("lists(): took f twice", x.lists(), 0);
        x.unsee();
        x.sight(2, false);
        x.sight(2, true);
        due("lists(): refused c, then took it", x.lists(), 0);
        x.unsee();
        for (int s = 0; s < 6; s++) {
            x.sight(s, s % 2 == 0);
        }
        due("lists(): of all sorts", x.lists(), 1);
    }

    private static void listed() {
        NeverHadBefore x = new NeverHadBefore();
        due("listed(0) of no sights", x.listed(0), 2);
        due("listed(5) of no sights", x.listed(5), 2);
        due("listed(6)", x.listed(6), UNKNOWN);
        due("listed(-1)", x.listed(-1), UNKNOWN);
        x.sight(3, true);
        x.sight(3, false);
        x.sight(4, false);
        due("listed(3): it took it", x.listed(3), 0);
        due("listed(4): it refused it", x.listed(4), 1);
        due("listed(2): who knows", x.listed(2), 2);
    }

    private static void listedOfNone() {
        NeverHadBefore x = new NeverHadBefore();
        x.sight(3, true);
        x.sight(3, true);
        due("listed(3): there is no list", x.listed(3), NONE);
        due("listed(0): nor for another sort", x.listed(0), NONE);
        due("listed(6): the sort first", x.listed(6), UNKNOWN);
        x.unsee();
        due("listed(3) behind unsee", x.listed(3), 2);
    }
}
