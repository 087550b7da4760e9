/** The program that README.md shows answers as it says there. */
final class ReadmeTest {
    public static void main(String[] args) {
        Latticehear x = new Latticehear();
        Check.same("the sound a", x.sound(0, 0, 0, 1), 0);
        Check.same("the sound b", x.sound(1000, 0, 0, 2), 1);
        x.type('a');
        x.type('b');
        Check.same("the word", x.word(10), 0);
        x.frame(0, 0, 0);
        x.frame(900, 0, 0);
        x.frame(1000, 0, 0);
        int row = x.best(0);
        Check.same("the best row", row, 1);
        Check.same("its weight", x.weight(row), 10010);
        Check.same("the cost of the word", x.over(0, 0, 3), 5010);
        Check.same("a price", x.price(Latticehear.NONE, 0), 2500);
        Check.same("the sound of the frame 1", x.path(1, 4), 1);
        Check.same("pairs", x.learn(row), 2);
        Check.same("its weight then", x.weight(row), 5010);
        Check.end();
    }
}
