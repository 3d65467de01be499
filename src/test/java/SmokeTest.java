public final class SmokeTest {
    public static void main(String[] args) {
        Openbook x = new Openbook();
        if (x.limit(0, 0, 101, -5, 0, 0) != 0 || x.market(2, 0, 3) != 1 || x.rest(0) != 2) {
            System.exit(1);
        }
    }
}
