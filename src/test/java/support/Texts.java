/** Texts of programs that lie at the edges of what the document takes. */
final class Texts {
    private Texts() {
    }

    /** So many empty METHODS. */
    static String methods(int many) {
        return "on 0{}".repeat(many);
    }

    /** A text filled up with spaces. */
    static String filled(String text, int bytes) {
        return text + " ".repeat(bytes - text.length());
    }

    /** A METHOD whose blocks lie within one another, so many with its own one; the innermost one holds the steps. */
    static String nested(int blocks, String steps) {
        return "on 0{" + "cut 1{".repeat(blocks - 1) + steps + "}".repeat(blocks);
    }

    /** A crowd of all KINDS. */
    static String crowd(int... lent) {
        return crowdOf(8, lent);
    }

    /**
     * METHOD 0 has a PAIR for each set of KINDS that are cut, 256 if there are 8. It calls others with so many
     * KINDS lent again, which have a PAIR for each set of the KINDS that are left.
     */
    static String crowdOf(int kinds, int... lent) {
        StringBuilder out = new StringBuilder("on 0{");
        for (int kind = 0; kind < kinds; kind++) {
            out.append("either{cut ").append(kind).append("{call 0;}}or{}");
        }
        for (int i = 0; i < lent.length; i++) {
            for (int kind = 0; kind < lent[i]; kind++) {
                out.append("lend ").append(kind).append(" 9{");
            }
            out.append("call ").append(i + 1).append(";").append("}".repeat(lent[i]));
        }
        return out.append("}").append(methods(lent.length)).toString();
    }
}
