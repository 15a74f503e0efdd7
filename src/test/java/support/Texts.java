/** Texts of deeds at the bounds. */
final class Texts {
    /** Twelve deeds, all by 0, of which none came of another: 23 bytes. */
    static final String TWELVE = "0;0;0;0;0;0;0;0;0;0;0;0";

    /** Eleven deeds in 59 bytes, so that only one byte more has room. */
    static final String ELEVEN_59 = "0!;0a!;0ab!;0abc!;0abc!;0abc!;0abc!;0abc!;0abc!;0abc!;0abc!";

    /** Twelve deeds in 58, 59 and 60 bytes. */
    static final String TWELVE_58 = "0!;0a!;0ab!;0abc!;0abc!;0abc!;0abc!;0abc!;0abc!;0abc!;0;0a";
    static final String TWELVE_59 = TWELVE_58 + "b";
    static final String TWELVE_60 = TWELVE_58 + "bc";

    private Texts() {
    }

    /** So many deeds, all by that person, of which none came of another. */
    static String deeds(int many, int person) {
        return (person + ";").repeat(many).substring(0, Math.max(0, 2 * many - 1));
    }

    /** So many deeds and a ; behind each, so that one more may come. */
    static String ahead(int many) {
        return "0;".repeat(many);
    }
}
