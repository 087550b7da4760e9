/** Promise 1: a new object. */
final class NewObjectTest {
    public static void main(String[] args) {
        Latticehear x = new Latticehear();
        long[] sums = {0, 0, 0, 0, 0, 0, 500, 1, 0};
        for (int what = 0; what < sums.length; what++) {
            Check.same("sum " + what + " of a new object", x.sum(what), sums[what]);
        }
        for (int speaker = 0; speaker < 4; speaker++) {
            for (int which = 0; which < 3; which++) {
                Check.same("shiftOf of a new object", x.shiftOf(speaker, which), 0);
            }
        }
        Check.same("best of a new object", x.best(0), Latticehear.NONE);
        Check.same("NONE", Latticehear.NONE, -1);
        Check.same("LEFT", Latticehear.LEFT, 0);
        Check.same("RIGHT", Latticehear.RIGHT, 1);
        Check.end();
    }
}
