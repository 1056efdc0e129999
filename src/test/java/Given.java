/** What many runs begin with, and the numbers that are beyond every limit. */
final class Given {
    static final String MIN = "-2147483648";
    static final String MAX = "2147483647";

    /** Two THINGS under none. */
    static final String TWO = "thing(-1)=0 thing(-1)=1 ";

    /** 0, 1 under 0, 2 under none. */
    static final String THREE = "thing(-1)=0 thing(0)=1 thing(-1)=2 ";

    /** 0 to 8, all under none. */
    static final String NINE = TWO + "thing(-1)=2 thing(-1)=3 thing(-1)=4 thing(-1)=5 thing(-1)=6 thing(-1)=7 thing(-1)=8 ";

    /** 0 to 8, each under the one ahead of it: 8 is of DEPTH 8. */
    static final String CHAIN = "thing(-1)=0 thing(0)=1 thing(1)=2 thing(2)=3 thing(3)=4 thing(4)=5 thing(5)=6 thing(6)=7 thing(7)=8 ";

    private Given() {
    }

    /** THE TEXT has so many bytes, a number that eight divides. */
    static String bytes(int length) {
        StringBuilder calls = new StringBuilder();
        for (int n = 8; n <= length; n += 8) calls.append("type(0,8)=").append(n).append(' ');
        return calls.toString();
    }
}
