/** Each sentence of the document by itself, with the boundary cases that it names; none may be left out. */
public final class SentencesTest {
    private static final int PROMISES = 18;

    public static void main(String[] args) {
        WhatItIs.all();
        TermsOfGrammars.all();
        TermsOfTables.all();
        TermsOfPacking.all();
        TermsOfParsers.all();
        PromisesOnRules.all();
        PromisesOnTables.all();
        PromisesOnParsing.all();
        Sentence.allOf("What it is", "Terms");
        for (int promise = 1; promise <= PROMISES; promise++) {
            Sentence.allOf("Promise " + promise);
        }
        Due.end();
    }
}
