/** Each sentence of the document by a test of its own; fails as well if there are words that no test names. */
public final class SentencesTest {
    public static void main(String[] args) {
        ValleySentences.all();
        TextSentences.all();
        QuestionSentences.all();
        CallSentences.all();
        AskSentences.all();
        for (String gap : Sentences.DOCUMENT.unnamed()) {
            Sentences.failed++;
            System.out.println("no test names this of part or promise " + gap);
        }
        System.out.println(Sentences.tests + " sentences, " + Sentences.failed + " not held");
        if (Sentences.failed != 0) System.exit(1);
    }
}
