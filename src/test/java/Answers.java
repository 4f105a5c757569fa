/** What refused calls answer, by the document's own numbers. */
interface Answers {
    int NONE = -6;
    int UNKNOWN = -1;
    int OUTSIDE = -2;
    int STATE = -3;
    int FULL = -4;
    int NO = -5;
    long LOST_UNKNOWN = -1000000000000000001L;
    long LOST_OUTSIDE = -1000000000000000002L;
    long LOST_STATE = -1000000000000000003L;
}
