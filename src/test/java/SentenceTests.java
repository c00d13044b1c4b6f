/** Sets each sentence of ../shared/DOC.md beside a test of its own; none is left without one. */
public final class SentenceTests {
    public static void main(String[] args) {
        TermSentences.tell();
        RuleTermSentences.tell();
        WeightTermSentences.tell();
        RepetitionTermSentences.tell();
        TextSentences.tell();
        RuleSentences.tell();
        LineSentences.tell();
        CategorySentences.tell();
        LearnedSentences.tell();
        RepetitionSentences.tell();
        Doc.noneLeft();
        Check.close("SentenceTests");
    }
}
