/** Machines just at a limit of the document and just beyond it, found by trying; as Check.show gives them. */
final class Found {
    /** Turned, they meet 500 and 501 sets. They are the smallest ones. */
    static final String TURNS_TO_500 = "2 0 -1,1 -2,3 +2,4 +4,5 +6,7 -8,8 -5,1 -3,9 +4,0 +3,2";
    static final String TURNS_TO_501 = "2 0 -1,2 +3,4 -5,6 +7,7 -7,6 -8,6 -2,9 +10,8 -0,8 -2,10 -6,1";
    /** Turned, they are smallest machines of 60 and of 61 states. */
    static final String TURNS_TO_60 = "2 0 -1,2 -3,3 -0,1 -4,2 -5,4 +6,0 +4,0";
    static final String TURNS_TO_61 = "2 0 -1,1 +2,3 -4,3 -3,1 -3,5 +0,6 -6,0";
    /** A word of A and then one of B: 500 and 501 sets are met. B takes no word, so the smallest has one state. */
    static final String THEN_500_A = "2 0 -4,2 +2,3 -1,4 +2,2 -0,1";
    static final String THEN_500_B = "2 0 -5,0 -5,9 -1,8 -4,4 -7,2 -8,8 -4,4 -9,4 -7,1 -2,3";
    static final String THEN_501_A = "2 0 -1,3 -1,2 +3,4 -1,1 -0,3";
    static final String THEN_501_B = "2 0 -5,8 -2,0 -4,2 -3,7 -9,6 -6,3 -0,4 -3,6 -4,3 -1,1";
    /** None or more of their words: 500 and 501 sets are met. Of the first one the smallest has one state. */
    static final String AGAIN_500 = "2 0 +0,11 -11,11 -1,4 -9,7 -6,2 -2,8 -7,0 -6,6 +1,0 +10,1 -3,9 +5,12 -9,9";
    static final String AGAIN_501 = "2 0 +0,9 -9,2 -5,1 -10,8 -11,7 +6,10 +8,4 -2,8 -1,6 +3,0 -0,7 +4,11";
    /** Smallest machines with 400 and 401 mappings. */
    static final String MAPS_400 = "2 0 -4,5 -3,5 +3,0 +1,4 -4,2 -2,2";
    static final String MAPS_401 = "2 0 +1,5 -4,2 +1,0 -2,3 -3,3 -4,1";

    private Found() {
    }

    /** The same states with another START. */
    static String from(int start, String shown) {
        return shown.replaceFirst(" \\d+ ", " " + start + " ");
    }
}
